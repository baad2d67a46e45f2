import java.util.ArrayList;
import java.util.List;
import java.util.Random;

/**
 * Promises 28, 30 to 33: every row of up to five words behind a KEY, and drawn long ones, asked of the program and
 * of a reader with two stacks, which is built otherwise than the program's own.
 */
public final class AllShortTextsTest {
    private static final String[] WORDS = {"k", "i", "7", "12345", "p", "(", ")", "!", "|", "&", "<", "+", "*"};
    private static final String[] LONG_WORDS = {"k", "i", "0", "9999", "3", "(", "(", "(", "!", "!", "!", ")", ")", "|", "&", "<", "=", ">",
        "+", "-", "*", "/"};
    private static final String JOINS = "|&<=>+-*/";
    private static final int[] RANKS = {1, 2, 3, 3, 3, 4, 4, 5, 5};
    private static final int DEEPEST = 8;
    private static final Due due = new Due();

    private static TattooRoads x;
    private static int walked;
    private static int inked;
    private static int calls = 512;

    public static void main(String[] args) {
        List<String> row = new ArrayList<>();
        allRows(row, 5);
        Random random = new Random(28);
        for (int i = 0; i < 200000; i++) {
            drawnRow(row, random);
            compare(row, "");
        }
        due.end();
    }

    private static void allRows(List<String> row, int more) {
        compare(row, " ");
        for (int i = 0; i < WORDS.length && more > 0; i++) {
            row.add(WORDS[i]);
            allRows(row, more - 1);
            row.remove(row.size() - 1);
        }
    }

    /** Mostly words with which a TEXT goes on, so that a row comes far. */
    private static void drawnRow(List<String> row, Random random) {
        row.clear();
        Stacks stacks = new Stacks();
        int length = 4;
        while (length < 92) {
            String word = LONG_WORDS[random.nextInt(LONG_WORDS.length)];
            boolean behindWord = !row.isEmpty() && isWord(row.get(row.size() - 1)) && isWord(word);
            boolean fits = !behindWord && stacks.fits(word);
            if (!behindWord && (fits || random.nextInt(200) == 0)) {
                row.add(word);
                length += word.length();
                if (!fits) {
                    return;
                }
                stacks.take(word);
            }
            if (random.nextInt(40) == 0) {
                return;
            }
        }
    }

    private static boolean isWord(String word) {
        char first = word.charAt(0);
        return first >= 'a' && first <= 'z' || first >= '0' && first <= '9';
    }

    private static void compare(List<String> row, String between) {
        StringBuilder tape = new StringBuilder("fee ");
        Stacks stacks = new Stacks();
        int fault = -1;
        for (String word : row) {
            tape.append(between);
            if (fault < 0 && !stacks.fits(word)) {
                fault = tape.length();
            }
            if (fault < 0) {
                stacks.take(word);
            }
            tape.append(word);
        }
        if (fault < 0 && !stacks.mayEnd()) {
            fault = tape.length();
        }
        anObjectWithRoom();
        String signs = tape.toString();
        int answer = Tapes.tell(x, signs);
        calls += 13;
        due.is(signs, fault < 0 ? 0 : -100 - fault, answer);
        if (fault < 0 && answer == 0) {
            due.is("NUMBERS and NAMES of " + signs, stacks.operands, x.textTold(0, 1));
            due.is("what is given by " + signs, stacks.value(), x.fee());
        }
        x.back();
    }

    /** Each one bears some thirty-five TEXTS; WALKED and INKED are neither 0 nor the same. */
    private static void anObjectWithRoom() {
        if (calls < 480) {
            return;
        }
        x = new TattooRoads();
        x.way(0, 1);
        x.way(1, 2);
        x.one(1, 0, 11);
        x.one(0, 0, 12);
        x.ink(0, 0);
        x.ink(0, 1);
        x.rule(0, 100);
        x.rule(1, 0);
        x.days(7);
        x.keep();
        walked = x.land(0);
        inked = x.land(1);
        due.is("WALKED and INKED can be told apart", 1, walked > inked && inked > 0 ? 1 : 0);
        calls = 12;
    }

    /** What is open waits on a stack of signs, what has a value on a stack of values. */
    private static final class Stacks {
        private final StringBuilder signs = new StringBuilder();
        private final List<Integer> values = new ArrayList<>();
        private boolean behindPiece = false;
        private int operands = 0;

        boolean fits(String word) {
            char first = word.charAt(0);
            if (!behindPiece) {
                return first == '(' ? open('(') < DEEPEST : first == '!' ? open('!') < DEEPEST
                    : word.matches("[0-9]{1,4}") || word.equals("k") || word.equals("i");
            }
            if (first == ')') {
                return open('(') > 0;
            }
            int rank = rank(first);
            return rank == 3 ? !aTestIsOpen() : rank > 0;
        }

        void take(String word) {
            char first = word.charAt(0);
            if (first == '(' || first == '!') {
                signs.append(first);
            } else if (first == ')') {
                join(1);
                drop();
                endPiece();
            } else if (rank(first) > 0) {
                join(rank(first));
                signs.append(first);
                behindPiece = false;
            } else {
                operands++;
                values.add(first == 'k' ? walked : first == 'i' ? inked : Integer.parseInt(word));
                endPiece();
            }
        }

        boolean mayEnd() {
            return behindPiece && open('(') == 0;
        }

        int value() {
            join(1);
            return values.get(0);
        }

        private int open(char sign) {
            return (int) signs.chars().filter(other -> other == sign).count();
        }

        private static int rank(char sign) {
            int join = JOINS.indexOf(sign);
            return join < 0 ? 0 : RANKS[join];
        }

        /** Whether a < = > waits for its second SUM, with only sums and terms behind it. */
        private boolean aTestIsOpen() {
            int last = signs.length() - 1;
            while (last >= 0 && rank(signs.charAt(last)) > 3) {
                last--;
            }
            return last >= 0 && rank(signs.charAt(last)) == 3;
        }

        private char drop() {
            char last = signs.charAt(signs.length() - 1);
            signs.setLength(signs.length() - 1);
            return last;
        }

        private boolean endsWith(char sign) {
            return signs.length() > 0 && signs.charAt(signs.length() - 1) == sign;
        }

        private void endPiece() {
            behindPiece = true;
            while (endsWith('!')) {
                drop();
                values.add(values.remove(values.size() - 1) == 0 ? 1 : 0);
            }
        }

        /** What binds as this rank or closer has both its sides now. */
        private void join(int least) {
            while (signs.length() > 0 && rank(signs.charAt(signs.length() - 1)) >= least) {
                int right = values.remove(values.size() - 1);
                int left = values.remove(values.size() - 1);
                values.add(joined(drop(), left, right));
            }
        }

        private static int joined(char sign, long left, long right) {
            switch (sign) {
                case '|': return left != 0 || right != 0 ? 1 : 0;
                case '&': return left != 0 && right != 0 ? 1 : 0;
                case '<': return left < right ? 1 : 0;
                case '=': return left == right ? 1 : 0;
                case '>': return left > right ? 1 : 0;
                case '+': return (int) (left + right);
                case '-': return (int) (left - right);
                case '*': return (int) (left * right);
                default: return right == 0 ? 0 : (int) (left / right);
            }
        }
    }
}
