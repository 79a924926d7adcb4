import java.util.Random;

/** Long runs of drawn calls, answered as the model answers them; no call throws, whatever it is given. */
public final class ModelTest {
    private static final int RUNS = 1500;
    /** A call here may be two, and an object is promised to be good for 512. */
    private static final int CALLS = 470;
    private static final String SIGNS = "cpna/=;xb0123456789";

    private final Random random;
    private final ClawCranes crane = new ClawCranes();
    private final Model model = new Model();
    private final boolean wild;

    private ModelTest(int seed) {
        random = new Random(seed);
        wild = seed % 5 == 0;
    }

    public static void main(String[] args) {
        for (int seed = 0; seed < RUNS; seed++) {
            ModelTest test = new ModelTest(seed);
            for (int call = 0; call < CALLS; call++) {
                test.call("seed " + seed + " call " + call + " ");
            }
            test.last("seed " + seed + " last ");
        }
        Check.end();
    }

    /** A number mostly from 0 to most - 1, at times beside that, in wild runs any. */
    private int some(int most) {
        int way = random.nextInt(wild ? 12 : 40);
        if (way == 0) {
            return -1 - random.nextInt(3);
        }
        if (way == 1) {
            return most + random.nextInt(3);
        }
        if (way == 2 && wild) {
            return random.nextInt();
        }
        if (way == 3 && wild) {
            return random.nextBoolean() ? Integer.MAX_VALUE : Integer.MIN_VALUE;
        }
        return random.nextInt(most);
    }

    private void call(String where) {
        int way = random.nextInt(100);
        if (way < 45) {
            change(where, way);
        } else if (way < 65) {
            look(where, way);
        } else if (way < 80) {
            wonder(where, way);
        } else if (way < 92) {
            text(where, way);
        } else {
            keep(where, way);
        }
    }

    private void last(String where) {
        for (int what = 0; what < 20; what++) {
            Check.due(where + "count " + what, crane.count(what), model.count(what));
        }
    }

    private void change(String where, int way) {
        int a = some(8);
        int b = some(5);
        if (way < 4) {
            int setting = some(6);
            int value = 1 + some(new int[] {9, 40, 60, 99, 9, 8}[Math.floorMod(setting, 6)]);
            Check.due(where + "set", crane.set(setting, value), model.set(setting, value));
        } else if (way < 12) {
            int kind = some(3);
            int weight = 1 + some(60);
            int value = 1 + some(random.nextBoolean() ? 99 : 3);
            Check.due(where + "prize", crane.prize(kind, weight, value), model.prize(kind, weight, value));
        } else if (way < 19) {
            int column = random.nextBoolean() ? Math.min(a, 3) : a;
            Check.due(where + "add", crane.add(column), model.add(column));
        } else if (way < 25) {
            int many = 1 + some(99);
            Check.due(where + "coins", crane.coins(many), model.coins(many));
        } else {
            Check.due(where + "play " + a + " " + b, crane.play(a, b), model.play(a, b));
        }
    }

    private void look(String where, int way) {
        int a = some(8);
        switch (way % 6) {
            case 0: {
                int prize = some(24);
                int what = some(6);
                Check.due(where + "of " + prize + " " + what, crane.of(prize, what), model.of(prize, what));
                break;
            }
            case 1: {
                int height = some(4);
                Check.due(where + "at", crane.at(a, height), model.at(a, height));
                break;
            }
            case 2: {
                int rank = some(10);
                int what = some(4);
                Check.due(where + "book " + rank + " " + what, crane.book(rank, what), model.book(rank, what));
                break;
            }
            case 3: Check.due(where + "byValue " + a, crane.byValue(a), model.byValue(a)); break;
            case 4: {
                int weight = some(61);
                Check.due(where + "lighter " + weight, crane.lighter(weight), model.lighter(weight));
                break;
            }
            default: {
                int what = some(20);
                Check.due(where + "count " + what, crane.count(what), model.count(what));
            }
        }
    }

    private void wonder(String where, int way) {
        int a = some(8);
        int b = some(5);
        switch (way % 5) {
            case 0: Check.due(where + "ifPlayed " + a + " " + b, crane.ifPlayed(a, b), model.ifPlayed(a, b)); break;
            case 1: Check.due(where + "load", crane.load(a, b), model.load(a, b)); break;
            case 2: Check.due(where + "untilFull", crane.untilFull(), model.untilFull()); break;
            case 3: Check.due(where + "bestColumn", crane.bestColumn(), model.bestColumn()); break;
            default: Check.due(where + "costs " + a, crane.costs(a), model.costs(a));
        }
    }

    private String order() {
        int a = random.nextInt(10);
        switch (random.nextInt(5)) {
            case 0: return "c" + random.nextInt(100);
            case 1: return "p" + a;
            case 2: return "p" + random.nextInt(8) + "/" + random.nextInt(6);
            case 3: return "n" + "pbx".charAt(a % 3) + random.nextInt(66) + "=" + random.nextInt(100);
            default: return "a" + random.nextInt(8);
        }
    }

    private void text(String where, int way) {
        switch (way % 6) {
            case 0: {
                long drawn = random.nextInt(3) == 0 ? random.nextLong() >>> 8 * random.nextInt(8)
                        : SIGNS.charAt(random.nextInt(SIGNS.length()));
                Check.due(where + "put " + drawn, crane.put(drawn), model.put(drawn));
                break;
            }
            case 1:
            case 2: {
                boolean sound = model.fault() == -6;
                long drawn = Cranes.number(order());
                if (sound) {
                    Check.due(where + "put ;", crane.put(';'), model.put(';'));
                }
                Check.due(where + "put " + drawn, crane.put(drawn), model.put(drawn));
                break;
            }
            case 3:
                if (random.nextInt(8) == 0 || model.fault() >= 0) {
                    Check.due(where + "wipe", crane.wipe(), model.wipe());
                }
                break;
            case 4: Check.due(where + "fault", crane.fault(), model.fault()); break;
            default: Check.due(where + "carryOut", crane.carryOut(), model.carryOut());
        }
    }

    private void keep(String where, int way) {
        int slot = some(2);
        switch (way % 4) {
            case 0: Check.due(where + "save", crane.save(slot), model.save(slot)); break;
            case 1:
                if (random.nextInt(4) == 0) {
                    Check.due(where + "restore", crane.restore(slot), model.restore(slot));
                }
                break;
            default: Check.due(where + "undo", crane.undo(), model.undo());
        }
    }
}
