import java.util.Random;

/** A random setup text, mostly without an error, of at most about 700 bytes. */
final class RandomText {
    private final Random random;
    private final StringBuilder text = new StringBuilder("lines;");
    private int handlers;
    private int lines;

    RandomText(Random random) {
        this.random = random;
    }

    String text() {
        rules();
        int wantedHandlers = random.nextInt(7);
        int wantedLines = random.nextInt(random.nextInt(8) + 1) + 1;
        for (int i = 0; i < wantedHandlers; i++) {
            addHandler();
        }
        for (int i = 0; i < wantedLines; i++) {
            addLine();
        }
        int requests = random.nextInt(45);
        for (int i = 0; i < requests && text.length() < 680; i++) {
            addRaise();
        }
        if (random.nextInt(4) == 0) {
            spoil();
        }
        return text.toString();
    }

    private void rule(String word, int least, int most) {
        if (random.nextInt(2) == 0) {
            text.append(word).append(' ').append(least + random.nextInt(most - least + 1)).append(';');
        }
    }

    private void rules() {
        rule("patience", 1, 6);
        rule("window", 1, 15);
        rule("storm", 0, 30);
        rule("period", 1, 12);
        rule("wage", 0, 4);
        if (random.nextInt(2) == 0) {
            text.append("fine ");
            sum(0);
            text.append(';');
        }
    }

    private void addHandler() {
        text.append("handler ").append(random.nextInt(60)).append(' ').append(1 + random.nextInt(6)).append(';');
        handlers++;
    }

    private void addLine() {
        text.append("line").append(random.nextInt(20)).append(' ').append(1 + random.nextInt(5)).append(' ')
                .append(random.nextInt(100));
        int tenants = random.nextInt(4);
        int first = random.nextInt(6);
        for (int i = 0; i < Math.min(tenants, handlers); i++) {
            text.append(' ').append((first + i) % handlers);
        }
        text.append(';');
        lines++;
    }

    private void addRaise() {
        text.append("raise ").append(random.nextInt(lines)).append(' ')
                .append(random.nextInt(random.nextInt(20) == 0 ? 1000 : 40)).append(' ')
                .append(1 + random.nextInt(30)).append(';');
    }

    private void sum(int depth) {
        term(depth);
        for (int i = random.nextInt(3); i > 0; i--) {
            text.append(random.nextBoolean() ? "+" : " - ");
            term(depth);
        }
    }

    private void term(int depth) {
        factor(depth);
        for (int i = random.nextInt(3); i > 0; i--) {
            text.append(random.nextBoolean() ? "*" : " / ");
            factor(depth);
        }
    }

    private void factor(int depth) {
        switch (random.nextInt(8)) {
            case 0 -> text.append(random.nextInt(10000));
            case 1, 2 -> text.append(random.nextInt(5));
            case 3 -> text.append("line");
            case 4 -> text.append("left");
            case 5 -> text.append("held");
            case 6 -> text.append("waited");
            default -> {
                if (depth < 4) {
                    text.append('(');
                    sum(depth + 1);
                    text.append(')');
                } else {
                    text.append("9");
                }
            }
        }
    }

    private static final String[] PIECES = {" ", "0", "1", "7", "9", "60", "999", "10000", ";", "(", ")", "((((", "+", "-",
            "*", "/", "line", "lines", "handler", "raise", "fine", "fine ", "wage 1;", "storm 5;", "patience 3;",
            "line 1 1 1;", "handler 1 1;", "handler 0 1;", "raise 0 0 1;", "left", "held", "x", "A", "\n", "\u00e9",
            "\u0000", "," };

    private void spoil() {
        for (int i = 1 + random.nextInt(2); i > 0; i--) {
            int at = random.nextInt(text.length() + 1);
            switch (random.nextInt(4)) {
                case 0 -> text.setLength(at);
                case 1 -> text.delete(at, Math.min(text.length(), at + 1 + random.nextInt(3)));
                default -> text.insert(at, PIECES[random.nextInt(PIECES.length)]);
            }
        }
    }
}
