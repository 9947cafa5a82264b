import java.util.ArrayList;
import java.util.Arrays;
import java.util.HashMap;
import java.util.HashSet;
import java.util.List;
import java.util.Map;
import java.util.Set;
import java.util.TreeSet;

/**
 * The document told a second time, with the collections of the library and without a thought of
 * room: what the class answers is held against it.
 */
final class Model implements Pages {
    private record Message(int kind, int from, int to, int page, int asker, long[] words,
                           TreeSet<Integer> copies) { }

    private static final class Share {
        int access;
        boolean owner;
        int guess;
        TreeSet<Integer> copies = new TreeSet<>();
        long[] words = new long[4];
        List<Message> queue = new ArrayList<>();
    }

    private static final class Job {
        final boolean write;
        final int page;
        final int word;
        final long value;
        String waitsFor = "nothing";
        final Set<Integer> unanswered = new HashSet<>();
        boolean called;

        Job(boolean write, int page, int word, long value) {
            this.write = write;
            this.page = page;
            this.word = word;
            this.value = value;
        }
    }

    private static final List<String> WAITS = List.of("nothing", "to read", "to write", "answers");

    private int n;
    private Map<String, Share> shares;
    private Map<Integer, Job> jobs;
    private Map<Integer, Integer> done;
    private Map<Integer, Long> results;
    private List<Message> flight;
    private Map<String, Integer> counts;

    Model() {
        begin(4);
    }

    @Override public boolean begin(int nodes) {
        if (!Set.of(2, 3, 4, 5, 6).contains(nodes)) {
            return false;
        }
        n = nodes;
        shares = new HashMap<>();
        jobs = new HashMap<>();
        done = new HashMap<>();
        results = new HashMap<>();
        flight = new ArrayList<>();
        counts = new HashMap<>();
        for (int node = 0; node < n; node++) {
            for (int page = 0; page < 8; page++) {
                Share s = new Share();
                s.guess = page % n;
                s.owner = s.guess == node;
                s.access = s.owner ? 2 : 0;
                shares.put(node + "/" + page, s);
            }
        }
        return true;
    }

    @Override public int read(int node, int page, int word) {
        return start(node, new Job(false, page, word, 0));
    }

    @Override public int write(int node, int page, int word, long v) {
        return start(node, new Job(true, page, word, v));
    }

    private int start(int node, Job job) {
        Share s = share(node, job.page);
        if (s == null || job.word < 0 || job.word > 3) {
            return -1;
        }
        if (jobs.containsKey(node) && !jobs.get(node).waitsFor.equals("nothing")) {
            return -1;
        }
        jobs.put(node, job);
        int least = job.write ? 2 : 1;
        if (s.access >= least) {
            complete(node);
        } else if (job.write && s.owner) {
            callBack(node);
        } else {
            job.waitsFor = job.write ? "to write" : "to read";
            send(new Message(job.write ? 2 : 1, node, s.guess, job.page, node, null, null));
        }
        if (job.waitsFor.equals("nothing")) {
            add("at once");
            return 1;
        }
        return 0;
    }

    private void complete(int node) {
        Job job = jobs.get(node);
        Share s = share(node, job.page);
        if (job.write) {
            s.words[job.word] = job.value;
            results.put(node, job.value);
        } else {
            results.put(node, s.words[job.word]);
        }
        job.waitsFor = "nothing";
        done.merge(node, 1, Integer::sum);
        add("done");
    }

    private void callBack(int node) {
        Job job = jobs.get(node);
        Share s = share(node, job.page);
        job.waitsFor = "answers";
        job.unanswered.addAll(s.copies);
        s.copies = new TreeSet<>();
        for (int copy : new TreeSet<>(job.unanswered)) {
            send(new Message(5, node, copy, job.page, -1, null, null));
            add("call");
        }
        completeIfAnswered(node);
    }

    private void completeIfAnswered(int node) {
        Job job = jobs.get(node);
        if (!job.unanswered.isEmpty()) {
            return;
        }
        Share s = share(node, job.page);
        s.access = 2;
        complete(node);
        List<Message> waiting = s.queue;
        s.queue = new ArrayList<>();
        for (Message m : waiting) {
            asking(m, node);
        }
    }

    @Override public int deliver(int i) {
        if (i < 0 || i >= flight.size()) {
            return -1;
        }
        Message m = flight.remove(i);
        int me = m.to;
        Share s = share(me, m.page);
        Job job = jobs.get(me);
        if (m.kind <= 2) {
            asking(m, me);
        } else if (m.kind == 3) {
            s.words = m.words.clone();
            s.guess = m.from;
            s.access = job.called ? 0 : 1;
            complete(me);
        } else if (m.kind == 4) {
            s.words = m.words.clone();
            s.copies = new TreeSet<>(m.copies);
            s.copies.remove(me);
            s.owner = true;
            s.guess = me;
            callBack(me);
        } else if (m.kind == 5) {
            s.access = 0;
            s.guess = m.from;
            if (job != null && job.page == m.page && job.waitsFor.equals("to read")) {
                job.called = true;
            }
            send(new Message(6, me, m.from, m.page, -1, null, null));
        } else {
            if (!job.unanswered.remove(m.from)) {
                throw new IllegalStateException("an answer that nobody waits for");
            }
            completeIfAnswered(me);
        }
        return m.kind;
    }

    private void asking(Message m, int me) {
        Share s = share(me, m.page);
        Job job = jobs.get(me);
        if (job != null && job.page == m.page
                && (job.waitsFor.equals("to write") || job.waitsFor.equals("answers"))) {
            s.queue.add(m);
        } else if (!s.owner) {
            send(new Message(m.kind, me, s.guess, m.page, m.asker, null, null));
            add("sent on");
            if (m.kind == 2) {
                s.guess = m.asker;
            }
        } else if (m.kind == 1) {
            s.copies.add(m.asker);
            s.access = 1;
            send(new Message(3, me, m.asker, m.page, -1, s.words.clone(), null));
            add("given to read");
        } else {
            send(new Message(4, me, m.asker, m.page, -1, s.words.clone(), s.copies));
            add("given to write");
            s.copies = new TreeSet<>();
            s.owner = false;
            s.access = 0;
            s.guess = m.asker;
        }
    }

    private void send(Message m) {
        flight.add(m);
        add("sent");
    }

    private void add(String what) {
        counts.merge(what, 1, Integer::sum);
    }

    private boolean isNode(int node) {
        return node >= 0 && node < n;
    }

    private Share share(int node, int page) {
        return shares.get(node + "/" + page);
    }

    private static int bits(TreeSet<Integer> set) {
        int sum = 0;
        for (int k : set) {
            sum += (int) Math.pow(2, k);
        }
        return sum;
    }

    @Override public int waits(int node) {
        if (!isNode(node)) {
            return -1;
        }
        return jobs.containsKey(node) ? WAITS.indexOf(jobs.get(node).waitsFor) : 0;
    }

    @Override public int at(int node, int what) {
        if (!isNode(node)) {
            return -1;
        }
        if (what == 4) {
            return done.getOrDefault(node, 0);
        }
        Job job = jobs.get(node);
        if (job == null || what < 0 || what > 4) {
            return -1;
        }
        return List.of(job.page, job.word, job.write ? 1 : 0, job.unanswered.size()).get(what);
    }

    @Override public long result(int node) {
        return results.getOrDefault(node, 0L);
    }

    @Override public int access(int node, int page) {
        Share s = share(node, page);
        return s == null ? -1 : s.access;
    }

    @Override public int owner(int page) {
        List<Integer> owners = new ArrayList<>();
        for (int node = 0; node < n; node++) {
            Share s = share(node, page);
            if (s != null && s.owner) {
                owners.add(node);
            }
        }
        if (owners.size() > 1) {
            throw new IllegalStateException("two owners of a page");
        }
        return owners.isEmpty() ? -1 : owners.get(0);
    }

    @Override public int guess(int node, int page) {
        Share s = share(node, page);
        return s == null ? -1 : s.guess;
    }

    @Override public int copies(int node, int page) {
        Share s = share(node, page);
        return s == null ? -1 : bits(s.copies);
    }

    @Override public long word(int node, int page, int word) {
        Share s = share(node, page);
        return s == null || word < 0 || word > 3 ? 0 : s.words[word];
    }

    @Override public int queue(int node, int page) {
        Share s = share(node, page);
        return s == null ? -1 : s.queue.size();
    }

    @Override public int chain(int node, int page) {
        if (share(node, page) == null) {
            return -1;
        }
        List<Integer> been = new ArrayList<>();
        int here = node;
        while (!been.contains(here)) {
            Job job = jobs.get(here);
            boolean waits = job != null && job.page == page && job.waitsFor.equals("to write");
            if (share(here, page).owner || isOnItsWay(page, here) || waits) {
                return been.size();
            }
            been.add(here);
            here = share(here, page).guess;
        }
        return -1;
    }

    private boolean isOnItsWay(int page, int to) {
        return flight.stream().anyMatch(m -> m.kind == 4 && m.page == page && m.to == to);
    }

    @Override public int flying() {
        return flight.size();
    }

    @Override public int letter(int i, int what) {
        if (i < 0 || i >= flight.size() || what < 0 || what > 5) {
            return -2;
        }
        Message m = flight.get(i);
        int copies = m.kind == 4 ? bits(m.copies) : 0;
        return Arrays.asList(m.kind, m.from, m.to, m.page, m.asker, copies).get(what);
    }

    @Override public long letterWord(int i, int k) {
        if (i < 0 || i >= flight.size() || k < 0 || k > 3 || flight.get(i).words == null) {
            return 0;
        }
        return flight.get(i).words[k];
    }

    @Override public int count(int what) {
        if (what == 0) {
            return n;
        }
        List<String> names = List.of("nodes", "sent", "sent on", "given to read",
                "given to write", "call", "done", "at once");
        return what < 0 || what > 7 ? -1 : counts.getOrDefault(names.get(what), 0);
    }
}
