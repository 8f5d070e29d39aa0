import java.util.ArrayList;
import java.util.List;
import java.util.Random;

/** A law as a tree, made at random, written out as a text and reckoned on the tree. */
final class SlowLaw {
    private interface Sum {
        long worth(int[] letters);

        String text();
    }

    private interface Truth {
        boolean holds(int[] letters);

        String text();
    }

    private record Clause(Truth condition, Sum sum) {
    }

    private static final String LETTERS = "mstnl";
    private final List<Clause> clauses = new ArrayList<>();
    private final Random random;

    SlowLaw(Random random) {
        this.random = random;
        int many = 1 + random.nextInt(3);
        for (int i = 0; i < many; i++) {
            boolean guarded = i + 1 < many || random.nextInt(3) > 0;
            clauses.add(new Clause(guarded ? condition(0) : null, sum(0)));
        }
    }

    String text() {
        StringBuilder text = new StringBuilder();
        for (Clause clause : clauses) {
            text.append(text.length() == 0 ? "" : ";").append("y:");
            if (clause.condition() != null) {
                text.append(clause.condition().text()).append('?');
            }
            text.append(clause.sum().text());
        }
        return text.toString();
    }

    long worth(int m, int s, int t, int n, int l) {
        int[] letters = {m, s, t, n, l};
        for (Clause clause : clauses) {
            if (clause.condition() == null || clause.condition().holds(letters)) {
                return clause.sum().worth(letters);
            }
        }
        return 0;
    }

    private static long within(long value) {
        return value > 1000000 ? 1000000 : value < -1000000 ? -1000000 : value;
    }

    private Sum sum(int depth) {
        return chain(depth, "+-");
    }

    private Sum chain(int depth, String signs) {
        Sum left = signs.equals("+-") ? chain(depth, "*/") : atom(depth);
        int more = random.nextInt(3) == 0 ? 1 + random.nextInt(2) : 0;
        for (int i = 0; i < more; i++) {
            Sum right = signs.equals("+-") ? chain(depth, "*/") : atom(depth);
            left = pair(left, signs.charAt(random.nextInt(2)), right);
        }
        return left;
    }

    private static Sum pair(Sum left, char sign, Sum right) {
        return new Sum() {
            public long worth(int[] letters) {
                long a = left.worth(letters);
                long b = right.worth(letters);
                return within(sign == '+' ? a + b : sign == '-' ? a - b : sign == '*' ? a * b : b == 0 ? 0 : a / b);
            }

            public String text() {
                return left.text() + sign + right.text();
            }
        };
    }

    private Sum atom(int depth) {
        int sort = random.nextInt(depth < 4 ? 10 : 8);
        if (sort >= 8) {
            Sum inner = sum(depth + 1);
            return new Sum() {
                public long worth(int[] letters) {
                    return inner.worth(letters);
                }

                public String text() {
                    return "[" + inner.text() + "]";
                }
            };
        }
        int number = random.nextInt(5) == 0 ? random.nextInt(10000) : random.nextInt(13);
        int letter = random.nextInt(5);
        return new Sum() {
            public long worth(int[] letters) {
                return sort < 5 ? letters[letter] : number;
            }

            public String text() {
                return sort < 5 ? LETTERS.substring(letter, letter + 1) : String.valueOf(number);
            }
        };
    }

    private Truth condition(int depth) {
        return either(depth, '|');
    }

    private Truth either(int depth, char sign) {
        Truth left = sign == '|' ? either(depth, '&') : unit(depth);
        int more = random.nextInt(3) == 0 ? 1 + random.nextInt(2) : 0;
        for (int i = 0; i < more; i++) {
            left = both(left, sign, sign == '|' ? either(depth, '&') : unit(depth));
        }
        return left;
    }

    private static Truth both(Truth left, char sign, Truth right) {
        return new Truth() {
            public boolean holds(int[] letters) {
                return sign == '|' ? left.holds(letters) || right.holds(letters)
                        : left.holds(letters) && right.holds(letters);
            }

            public String text() {
                return left.text() + sign + right.text();
            }
        };
    }

    private Truth unit(int depth) {
        int sort = random.nextInt(depth < 3 ? 8 : 4);
        if (sort >= 6) {
            return wrapped("!", unit(depth + 1), "", false);
        }
        return sort >= 4 ? wrapped("(", condition(depth + 1), ")", true) : comparison(depth);
    }

    private static Truth wrapped(String ahead, Truth inner, String behind, boolean due) {
        return new Truth() {
            public boolean holds(int[] letters) {
                return inner.holds(letters) == due;
            }

            public String text() {
                return ahead + inner.text() + behind;
            }
        };
    }

    private Truth comparison(int depth) {
        Sum left = sum(depth);
        Sum right = sum(depth);
        char sign = "=<>".charAt(random.nextInt(3));
        return new Truth() {
            public boolean holds(int[] letters) {
                long a = left.worth(letters);
                long b = right.worth(letters);
                return sign == '=' ? a == b : sign == '<' ? a < b : a > b;
            }

            public String text() {
                return left.text() + sign + right.text();
            }
        };
    }
}
