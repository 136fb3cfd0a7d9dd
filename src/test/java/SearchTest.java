/** Promises 21 to 23: the search for the smallest expression. */
public final class SearchTest {
    private static final Due due = new Due("SearchTest");

    public static void main(String[] args) {
        ordinarySearches();
        firstMetOfTheSmallest();
        searchFollowsTheState();
        due.end();
    }

    private static void search(long regex, long smallest, int distance, int reachable) {
        RegexSimplifier x = new RegexSimplifier();
        due.is("load(" + regex + ")", x.load(regex) > 0 ? 1 : 0, 1);
        due.is("smallest() of " + regex, x.smallest(), smallest);
        due.is("smallestDistance() of " + regex, x.smallestDistance(), distance);
        due.is("reachableCount() of " + regex, x.reachableCount(), reachable);
        due.is("current() of " + regex, x.current(), regex);
        due.is("stepCount() of " + regex, x.stepCount(), 0);
    }

    private static void ordinarySearches() {
        due.sentence("Promise 21", "Returns the encoding of the smallest expression");
        search(1L, 1L, 0, 1);
        search(634L, 634L, 0, 1);
        search(613L, 3L, 1, 2);
        search(611L, 1L, 1, 2);
        search(6734735L, 73645L, 1, 2);
        search(6734734L, 734L, 1, 4);
        search(8683868384L, 8634L, 5, 11);
        search(6268283L, 83L, 3, 4);
        search(888623L, 83L, 3, 6);
        search(888888888888888883L, 83L, 16, 17);
    }

    /** Several results have the smallest size; the one of the lower position or rule is met first. */
    private static void firstMetOfTheSmallest() {
        due.sentence("Promise 21", "the one that was met first is the answer");
        search(6723733L, 76233L, 1, 3);
        search(6732733L, 73623L, 1, 3);
        search(6733723L, 76323L, 1, 3);
        search(86742744L, 874624L, 1, 3);
        search(67337382L, 73632L, 2, 5);
        search(67447824L, 76424L, 2, 5);
        search(617675267527545L, 7756245L, 3, 20);
        search(7728672467247342L, 876234L, 4, 40);
    }

    private static void searchFollowsTheState() {
        due.sentence("Promise 23", "Returns how many expressions the search of smallest() meets");
        RegexSimplifier x = new RegexSimplifier();
        x.load(8683868384L);
        due.is("reachableCount()", x.reachableCount(), 11);
        x.apply(13, 0);
        due.is("reachableCount() after apply", x.reachableCount(), 8);
        due.is("smallestDistance() after apply", x.smallestDistance(), 4);
        x.undo(1);
        due.is("reachableCount() after undo", x.reachableCount(), 11);
        x.load(33L);
        due.is("reachableCount() after an error of load", x.reachableCount(), 11);
        x.simplify();
        due.is("smallest() after simplify", x.smallest(), 86368384L);
        x.load(3L);
        due.is("smallest() after load", x.smallest(), 3L);
        due.is("reachableCount() after load", x.reachableCount(), 1);
    }
}
