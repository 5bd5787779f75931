/** Objects to begin with: a new one, one that has some of everything, and one in which nothing more has room. */
enum World {
    NEW(0), SOME(5), FULL(24);

    final int words;

    World(int words) {
        this.words = words;
    }

    WordTree make() {
        return switch (this) {
            case NEW -> new WordTree();
            case SOME -> some();
            case FULL -> full();
        };
    }

    /** Text 1 is free, so that the least free number isn't how many there are. */
    private static WordTree some() {
        WordTree x = new WordTree();
        Checks.text(x, "pets such as dogs, cats and other pets, dogs or cats");
        Checks.text(x, "cows part of farms. cows is a kind of pets");
        Checks.text(x, "pets such as dogs");
        x.back(1);
        x.say(2, 0, 0, 3, 4);
        x.say(9, 3, 3, 1, 0);
        x.say(0, 2, 1, 3, 9);
        x.say(5, 1, 3, 4, 1);
        x.say(7, 0, 1, 2, 2);
        x.keep();
        x.say(1, 0, 4, 0, 9);
        Checks.feed(x, "dogs or cats. cows or farms. dogs such as cats");
        return x;
    }

    /** 24 words, 12 texts, 60 sayings, 200 bytes on the tape, and a picture that isn't the tree any more. */
    private static WordTree full() {
        WordTree x = Checks.withWords(24);
        for (int t = 0; t < 12; t++) {
            Checks.text(x, Checks.name(t) + " such as " + Checks.name(t + 1) + ". " + Checks.name(t + 12) + " or "
                    + Checks.name(t));
        }
        for (int i = 0; i < 60; i++) {
            int a = i * 7 % 24;
            int b = (i * 5 + 3) % 24;
            x.say(i % 10, i % 4, a, a == b ? (b + 1) % 24 : b, 1 + i % 9);
            if (i == 40) {
                x.keep();
            }
        }
        Checks.feed(x, "wa or wb. ".repeat(20));
        return x;
    }
}
