/**
 * The boundary cases of promises 2 (levels) and 3 (level), and of the LEVELS of the terms. The
 * comment ahead of each test is the sentence that it holds the class to.
 */
public final class LevelsBoundsTest {
    private static final Due DUE = new Due();

    public static void main(String[] args) {
        levelsAreOfOneToThirtyDays();
        levelsAreAllZero();
        levelsHaveSoManyDays();
        levelIsOneOfTheDays();
        eachLevelIsZeroToForty();
        levelsComeAgainAndAgain();
        levelChangesOneDayOfThem();
        aStayFixesThem();
        aBoatWithAHomeFixesThem();
        nothingElseFixesThem();
        DUE.finish();
    }

    /** The level of a day, by the least that the hoist would not do without. */
    private static int levelOn(SmallHarbour x, int day) {
        int lift = x.lift(0, day, 600);
        int level = -1;
        for (int least = 0; least <= 40; least++) {
            x.hoist(least, 500, 600);
            level = x.lifted(lift) == day ? least : level;
        }
        return level;
    }

    // "LEVELS: of 1 to 30 DAYS"; "LEVELS have n DAYS, all 0: true. False for others".
    private static void levelsAreOfOneToThirtyDays() {
        Scene scene = new Scene(DUE, Scenes::tidal);
        scene.takes("levels", 1, 30, (x, n) -> Scene.bit(x.levels(n)), 1, 0);
        Scene empty = new Scene(DUE, x -> { });
        empty.takes("levels of a new object", 1, 30, (x, n) -> Scene.bit(x.levels(n)), 1, 0);
    }

    // "LEVELS have n DAYS, all 0".
    private static void levelsAreAllZero() {
        for (int n : new int[] {1, 2, 3, 4, 29, 30}) {
            Scene scene = new Scene(DUE, x -> {
                x.boat(10, 0, 1, -1);
                x.levels(30);
                for (int k = 0; k < 30; k++) {
                    x.level(k, 40);
                }
                x.levels(n);
            });
            for (int day : new int[] {0, 1, n - 1, n, n + 1, 29, 30, 399}) {
                scene.answers("level on " + day + " of " + n, x -> levelOn(x, day), 0);
            }
        }
    }

    // "LEVELS have n DAYS": the last of them is n - 1, and none is left of a longer row.
    private static void levelsHaveSoManyDays() {
        for (int n : new int[] {1, 2, 29, 30}) {
            Scene scene = new Scene(DUE, x -> {
                x.levels(30);
                x.levels(n);
            });
            scene.answers("the last of " + n, x -> Scene.bit(x.level(n - 1, 5)), 1);
            scene.answers("the one behind the last of " + n, x -> Scene.bit(x.level(n, 5)), 0);
        }
    }

    // "A LEVEL: true. False for others."
    private static void levelIsOneOfTheDays() {
        Scene one = new Scene(DUE, x -> x.boat(10, 0, 1, -1));
        one.takes("of one day, level", 0, 0, (x, k) -> Scene.bit(x.level(k, 3)), 1, 0);
        Scene three = new Scene(DUE, Scenes::tidal);
        three.takes("of three days, level", 0, 2, (x, k) -> Scene.bit(x.level(k, 3)), 1, 0);
        Scene thirty = new Scene(DUE, x -> {
            x.boat(10, 0, 1, -1);
            x.levels(30);
            x.level(0, 1);
            x.level(29, 2);
        });
        thirty.takes("of thirty days, level", 0, 29, (x, k) -> Scene.bit(x.level(k, 3)), 1, 0);
    }

    // "each 0 .. 40".
    private static void eachLevelIsZeroToForty() {
        Scene scene = new Scene(DUE, Scenes::tidal);
        scene.takes("level(1, v)", 0, 40, (x, v) -> Scene.bit(x.level(1, v)), 1, 0);
        Scene bare = new Scene(DUE, x -> {
            x.boat(10, 0, 1, -1);
            x.levels(3);
        });
        for (int v : new int[] {0, 1, 39, 40}) {
            bare.then(x -> x.level(1, v)).answers("the level of day 1", x -> levelOn(x, 1), v);
        }
    }

    // "again and again from DAY 0 on: LEVEL of a DAY".
    private static void levelsComeAgainAndAgain() {
        for (int n : new int[] {1, 2, 7, 29, 30}) {
            Scene scene = new Scene(DUE, x -> {
                x.boat(10, 0, 1, -1);
                x.levels(n);
                for (int k = 0; k < n; k++) {
                    x.level(k, k + 1);
                }
            });
            for (int day : new int[] {0, 1, n - 1, n, n + 1, 2 * n - 1, 2 * n, 398, 399}) {
                scene.answers("level on " + day + " of " + n, x -> levelOn(x, day), day % n + 1);
            }
        }
    }

    // "A LEVEL": it alone, the others stay.
    private static void levelChangesOneDayOfThem() {
        Scene scene = new Scene(DUE, x -> {
            x.boat(10, 0, 1, -1);
            x.levels(3);
            x.level(0, 10);
            x.level(1, 20);
            x.level(2, 30);
            x.level(1, 21);
        });
        scene.answers("the one ahead", x -> levelOn(x, 0), 10);
        scene.answers("it", x -> levelOn(x, 1), 21);
        scene.answers("the one behind", x -> levelOn(x, 2), 30);
    }

    private static void refusesAnyLevels(String name, Scene scene) {
        scene.refuses(name + ": levels(1)", x -> Scene.bit(x.levels(1)), 0);
        scene.refuses(name + ": levels(3)", x -> Scene.bit(x.levels(3)), 0);
        scene.refuses(name + ": levels(31)", x -> Scene.bit(x.levels(31)), 0);
        scene.refuses(name + ": level(0, 40)", x -> Scene.bit(x.level(0, 40)), 0);
        scene.refuses(name + ": level(0, 0)", x -> Scene.bit(x.level(0, 0)), 0);
        scene.refuses(name + ": level(3, 0)", x -> Scene.bit(x.level(3, 0)), 0);
    }

    // "or if a STAY .. is there (so for level())".
    private static void aStayFixesThem() {
        Scene scene = new Scene(DUE, Scenes::tidal).then(x -> x.stay(2, 399, 400));
        scene.answers("there is a stay", x -> x.about(2), 1);
        refusesAnyLevels("a stay of the last night", scene);
        Scene left = new Scene(DUE, Scenes::tidal).then(x -> {
            x.stay(2, 0, 2);
            x.leaves(0, 1);
        });
        refusesAnyLevels("a stay that was left early", left);
    }

    // "or if a .. BOAT with a HOME is there (so for level())".
    private static void aBoatWithAHomeFixesThem() {
        Scene scene = new Scene(DUE, Scenes::tidal).then(x -> x.boat(10, 0, 1, 2));
        scene.answers("there is a boat with a home", x -> x.boatOf(4, 3), 2);
        refusesAnyLevels("a home", scene);
        refusesAnyLevels("a home whose boat is always away", scene.then(x -> x.away(4, 0, 400)));
        for (int home : new int[] {0, 9}) {
            Scene ten = new Scene(DUE, x -> {
                for (int i = 0; i < 10; i++) {
                    x.berth(50, 5);
                }
                x.boat(50, 5, 1, home);
            });
            refusesAnyLevels("home " + home + " alone", ten);
        }
        refusesAnyLevels("something of everything", new Scene(DUE, Scenes::busy));
    }

    // The same sentence: a boat without a home, and a boat or a stay that was refused, are none.
    private static void nothingElseFixesThem() {
        Scene scene = new Scene(DUE, Scenes::tidal).then(x -> {
            DUE.is("a home that doesn't fit", x.boat(101, 0, 1, 0), -1);
            DUE.is("a stay that has no berth", x.stay(1, 0, 0), -1);
        });
        scene.answers("levels(2)", x -> Scene.bit(x.levels(2)), 1);
        scene.answers("level(0, 9)", x -> Scene.bit(x.level(0, 9)), 1);
    }
}
