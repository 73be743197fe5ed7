import java.util.Arrays;
import java.util.Random;

/** FEWEST against all bridges that there are, none left out, on rivers by chance in every YEAR until none bears her. */
public final class FewestOfAll {
    private static final int CROW = 1, FLEDGLING = 2, PROUD = 3, PAIRED = 4, NONE = -4;

    private final int[][] birds;
    private final int[] winds;
    private final int places;
    private final int heavy;
    private final int heavier;
    private final int[] order = new int[8];
    private int[] found;

    private FewestOfAll(Random chance) {
        int strongest = 20 + chance.nextInt(41);
        int spread = 1 + chance.nextInt(12);
        int longest = 1 + chance.nextInt(3);
        boolean crows = chance.nextBoolean();
        birds = new int[3 + chance.nextInt(5)][];
        int all = 0;
        for (int b = 0; b < birds.length; b++) {
            int kind = crows && chance.nextBoolean() ? CROW : chance.nextInt(5);
            birds[b] = new int[] {strongest - chance.nextInt(spread), 1 + chance.nextInt(longest), kind == CROW && !crows ? 0 : kind, b};
            all += birds[b][1];
        }
        places = Math.max(1, Math.min(9, all - chance.nextInt(4)));
        winds = new int[chance.nextInt(9)];
        for (int i = 0; i < winds.length; i++) {
            winds[i] = chance.nextInt(21);
        }
        heavy = 1 + chance.nextInt(10);
        heavier = 1 + chance.nextInt(3);
    }

    private String text() {
        StringBuilder text = new StringBuilder();
        for (int[] one : birds) {
            text.append('b').append(one[0]).append(',').append(one[1]).append(',').append(one[2]).append(',').append(one[3]).append(';');
        }
        text.append('r').append(places).append(';');
        for (int wind : winds) {
            text.append('w').append(wind).append(';');
        }
        return text.append('l').append(heavy).append(',').append(heavier).append(';').toString();
    }

    private boolean joins(int size, int b) {
        boolean anyCrow = false;
        for (int[] one : birds) {
            anyCrow |= one[2] == CROW;
        }
        for (int k = 0; k < size; k++) {
            if (order[k] == b) {
                return false;
            }
        }
        return size == 0 ? !anyCrow || birds[b][2] == CROW : birds[b][2] != PROUD || birds[order[size - 1]][2] != PROUD;
    }

    private void tryAll(int size, int spanned, int weight) {
        if (spanned >= places) {
            if ((found == null || size < found.length) && holds(size, weight)) {
                found = Arrays.copyOf(order, size);
            }
            return;
        }
        for (int b = 0; b < birds.length; b++) {
            if (joins(size, b)) {
                order[size] = b;
                tryAll(size + 1, spanned + birds[b][1], weight);
            }
        }
    }

    private boolean holds(int size, int weight) {
        int[] tired = new int[size];
        int under = 0;
        int end = birds[order[0]][1];
        for (int minute = 0; minute < places; minute++) {
            if (minute == end) {
                under++;
                end += birds[order[under]][1];
            }
            int load = weight + (winds.length == 0 ? 0 : winds[minute % winds.length]);
            for (int k = Math.max(0, under - 2); k < size && k <= under + 2; k++) {
                int bears = load >> Math.abs(k - under);
                if (bears > power(k, size, tired[k])) {
                    return false;
                }
                tired[k] += bears / 8 * (birds[order[k]][2] == FLEDGLING ? 2 : 1);
            }
        }
        return true;
    }

    private int power(int k, int size, int tired) {
        int[] bird = birds[order[k]];
        boolean paired = k > 0 && birds[order[k - 1]][2] == PAIRED || k < size - 1 && birds[order[k + 1]][2] == PAIRED;
        int left = bird[0] - tired;
        return bird[2] == CROW && k > 0 && k < size - 1 ? left / 2 : bird[2] == PAIRED && paired ? left + 5 : left;
    }

    /** How many answers are not as due. */
    private int wrong() {
        BirdBridge x = new BirdBridge();
        for (char letter : text().toCharArray()) {
            x.write(letter);
        }
        x.lay();
        int wrong = 0;
        for (int year = 0; year <= 20; year++) {
            found = null;
            tryAll(0, 0, x.year(year));
            for (int k = -1; k < 8; k++) {
                int due = found == null ? NONE : k == -1 ? found.length : k < found.length ? found[k] : NONE;
                int is = x.fewest(k);
                if (is != due) {
                    wrong++;
                    System.out.println(text() + " in year " + year + ": fewest(" + k + ") answered " + is + ", due is " + due);
                }
            }
            if (found == null) {
                break;
            }
        }
        return wrong;
    }

    public static void main(String[] args) {
        int rivers = args.length > 0 ? Integer.parseInt(args[0]) : 4000;
        int wrong = 0;
        for (int river = 0; river < rivers && wrong == 0; river++) {
            wrong += new FewestOfAll(new Random(river)).wrong();
        }
        System.out.println(wrong == 0 ? rivers + " rivers: all answers are as due" : wrong + " answers are not as due");
        if (wrong != 0) {
            System.exit(1);
        }
    }
}
