/** Terms 2, step (c), LEADING and JOINING: with which AGE, and who must be HEARD. */
final class Terms2cLeadingJoiningTest {
    public static void main(String[] args) {
        leaderWithAgeThree();
        leaderWithAgesUpToSeven();
        leaderGivesUp();
        leaderThatHearsAFollower();
        joinerWithAgeTwo();
        joinerThatHearsNobody();
        joinerThatHearsAFollower();
        joinerThatHearsAnotherStarter();
        Check.end();
    }

    /** NODE 1 SENDS in CYCLE 6 first, where NODE 0 has AGE 3. */
    private static void leaderWithAgeThree() {
        SlotStart x = new SlotStart();
        x.wake(0, 0);
        x.wake(1, 0);
        x.run(6);
        Check.due("AGE 3 ahead of CYCLE 6", x.told(0, 1), 3);
        Check.due("LEADING", x.told(0, 0), 2);
        x.run(1);
        Check.due("HEARD in CYCLE 6", x.told(0, 9), 1);
        Check.due("ACTIVE", x.told(0, 0), 4);
    }

    /** NODE 1 is woken so that it SENDS first in the CYCLE in which NODE 0 has that AGE, 7 at most. */
    private static void leaderWithAgesUpToSeven() {
        for (int age = 4; age <= 7; age++) {
            SlotStart x = new SlotStart();
            x.wake(0, 0);
            x.run(age + 1);
            x.wake(1, 0);
            x.run(2);
            Check.due("AGE", x.told(0, 1), age);
            Check.due("JOINING", x.told(1, 0), 3);
            Check.due("LEADING", x.told(0, 0), 2);
            x.run(1);
            Check.due("ACTIVE with AGE " + age, x.told(0, 0), 4);
        }
    }

    private static void leaderGivesUp() {
        SlotStart x = new SlotStart();
        x.wake(0, 0);
        x.run(3);
        for (int age = 0; age <= 7; age++) {
            Check.due("LEADING with AGE " + age, x.told(0, 0), 2);
            Check.due("AGE", x.told(0, 1), age);
            x.run(1);
        }
        Check.due("LISTENING behind AGE 7", x.told(0, 0), 1);
        Check.due("it SENT with the AGES 1 to 7", x.told(0, 7), 7);
    }

    /**
     * NODE 3 is a FOLLOWER that comes back in CYCLE 17 and SENDS in CYCLES 18 to 21, where NODE 2 has the AGES 5 to 7:
     * it HEARS somebody, but no STARTER.
     */
    private static void leaderThatHearsAFollower() {
        SlotStart x = Scenes.onePassive();
        x.bound(500);
        x.clock(3, 0, 0);
        x.off(0);
        x.off(1);
        x.node(2, 1, 3, 1);
        x.wake(2, 150);
        x.run(6);
        Check.due("NODE 3 is ACTIVE", x.count(2), 8);
        Check.due("AGE", x.told(2, 1), 5);
        for (int age = 5; age <= 7; age++) {
            Check.due("LEADING with AGE " + age, x.told(2, 0), 2);
            x.run(1);
            Check.due("HEARD", x.told(2, 9), 1);
            Check.due("GUIDE", x.told(2, 8), SlotStart.NONE);
        }
        Check.due("LISTENING behind AGE 7", x.told(2, 0), 1);
    }

    private static void joinerWithAgeTwo() {
        SlotStart x = new SlotStart();
        x.wake(0, 0);
        x.wake(1, 0);
        x.run(6);
        for (int age = 0; age <= 2; age++) {
            Check.due("JOINING with AGE " + age, x.told(1, 0), 3);
            Check.due("AGE", x.told(1, 1), age);
            x.run(1);
        }
        Check.due("ACTIVE behind AGE 2", x.told(1, 0), 4);
    }

    private static void joinerThatHearsNobody() {
        for (int age = 0; age <= 2; age++) {
            SlotStart x = new SlotStart();
            x.wake(0, 0);
            x.wake(1, 0);
            x.run(6 + age);
            Check.due("AGE", x.told(1, 1), age);
            x.off(0);
            x.run(1);
            Check.due("it SENT", x.count(1), 2);
            Check.due("LISTENING behind AGE " + age, x.told(1, 0), 1);
        }
    }

    /** NODE 2 joins 0, 1 and 3 in CYCLE 10; then the STARTERS 0 and 1 are OFF, and 3 SENDS still. */
    private static void joinerThatHearsAFollower() {
        for (int age = 0; age <= 2; age++) {
            SlotStart x = Scenes.three();
            x.wake(2, 0);
            x.run(2 + age);
            Check.due("JOINING", x.told(2, 0), 3);
            Check.due("AGE", x.told(2, 1), age);
            x.off(0);
            x.off(1);
            x.run(1);
            Check.due("HEARD", x.told(2, 9), 1);
            Check.due("LISTENING behind AGE " + age, x.told(2, 0), 1);
        }
    }

    /** Its GUIDE is gone, but a STARTER is there: any one will do. */
    private static void joinerThatHearsAnotherStarter() {
        SlotStart x = Scenes.two();
        x.wake(2, 0);
        x.run(4);
        Check.due("JOINING", x.told(2, 0), 3);
        Check.due("AGE", x.told(2, 1), 2);
        x.off(0);
        x.run(1);
        Check.due("GUIDE", x.told(2, 8), 1);
        Check.due("ACTIVE", x.told(2, 0), 4);
    }
}
