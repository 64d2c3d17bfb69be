import java.util.ArrayList;
import java.util.List;

/** The KINDS and their acts as Java's own classes have them, to compare with. */
final class Kinds {
    private Kinds() {
    }

    static Body of(int kind, int n, int more) {
        switch (kind) {
            case 0: return new Body(n, more);
            case 1: return new Person(n, more);
            case 2: return new Player(n, more);
            case 3: return new Keeper(n, more);
            case 4: return new Youth(n, more);
            case 5: return new Club(n, more);
            case 6: return new Agent(n, more);
            default: return new School(n, more);
        }
    }

    interface Plays {
        int number();

        void ran(int body);

        default int plays(int x) {
            ran(1);
            return x - number();
        }
    }

    interface Tells {
        int pays(int x);

        int signs(int x);

        void ran(int body);

        default int tells(int x) {
            return theOneOfTells(x);
        }

        default int theOneOfTells(int x) {
            ran(2);
            return signs(pays(x));
        }
    }

    static class Body implements Plays, Tells {
        final List<Integer> ran = new ArrayList<>();
        final int n;
        final int more;

        Body(int n, int more) {
            this.n = n;
            this.more = more;
        }

        int act(int act, int x) {
            return act == 0 ? plays(x) : act == 1 ? pays(x) : act == 2 ? signs(x) : tells(x);
        }

        @Override
        public int number() {
            return n;
        }

        @Override
        public void ran(int body) {
            ran.add(body);
        }

        @Override
        public int pays(int x) {
            ran(10);
            return plays(x) + 4;
        }

        @Override
        public int signs(int x) {
            ran(11);
            return x ^ n;
        }
    }

    static class Person extends Body {
        Person(int n, int more) {
            super(n, more);
        }

        @Override
        public int plays(int x) {
            ran(20);
            return super.plays(x) * 2;
        }
    }

    static class Player extends Person {
        Player(int n, int more) {
            super(n, more);
        }

        @Override
        public int pays(int x) {
            ran(30);
            return super.pays(x) - more;
        }

        @Override
        public int tells(int x) {
            ran(31);
            return theOneOfTells(x) + 1;
        }
    }

    static class Keeper extends Player {
        Keeper(int n, int more) {
            super(n, more);
        }

        @Override
        public int plays(int x) {
            ran(40);
            return super.plays(x + 1);
        }

        @Override
        public int signs(int x) {
            ran(41);
            return super.signs(x) + plays(0);
        }
    }

    static class Youth extends Player {
        Youth(int n, int more) {
            super(n, more);
        }

        @Override
        public int pays(int x) {
            ran(50);
            return super.pays(x) * 3;
        }
    }

    static class Club extends Body {
        Club(int n, int more) {
            super(n, more);
        }

        @Override
        public int signs(int x) {
            ran(60);
            return -super.signs(x);
        }

        @Override
        public int pays(int x) {
            ran(61);
            return super.pays(x) ^ more;
        }
    }

    static class Agent extends Person {
        Agent(int n, int more) {
            super(n, more);
        }

        @Override
        public int tells(int x) {
            ran(70);
            return super.tells(x) - plays(1);
        }
    }

    static class School extends Club {
        School(int n, int more) {
            super(n, more);
        }

        @Override
        public int pays(int x) {
            ran(80);
            return super.pays(x) + super.signs(x);
        }
    }
}
